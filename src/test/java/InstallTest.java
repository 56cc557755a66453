import java.util.NoSuchElementException;

/** Promises 17 and 18: install and installed (and 16 with install). */
public final class InstallTest {
    private static final Checks CHECKS = new Checks();
    private static final int END = World.END;

    public static void main(String[] args) {
        installs();
        noContent();
        refusals();
        order();
        CHECKS.finish("InstallTest");
    }

    private static World world() {
        World world = World.withSnapshot(3, 4, 5);
        int[] content = {1, 2, 3};
        int[][] targets = {Doc.targetOf("a", content), Doc.target("b", 4, Doc.mix(content, 3, 0)),
            Doc.target("c", 3, Doc.mix(content, 3, 0) + 1), Doc.target("none", 0, 0)};
        World.targets(1, targets, new int[][] {Doc.delegation(4, 0, Doc.keys(1, 4), "d")}).offerTo(world.x);
        Doc.targets(4, 1, END, new int[][] {Doc.targetOf("da", content), Doc.targetOf("a", 7)}, World.NO).signed(4)
                .offerTo(world.x);
        return world;
    }

    private static void keep(World world, int... content) {
        new Doc(content).draftIn(world.x);
        CHECKS.due("content()", world.x.content(), content.length);
        world.x.cut(0);
    }

    private static void installs() {
        World world = world();
        keep(world, 1, 2, 3);
        CHECKS.due("install a", world.install("a"), 3);
        CHECKS.due("visits()", world.x.visits(), 1);
        CHECKS.due("installed()", world.x.installed(), 1);
        CHECKS.due("install da", world.install("da"), 4);
        CHECKS.due("visits()", world.x.visits(), 2);
        CHECKS.due("installed()", world.x.installed(), 2);
        CHECKS.due("install a again", world.install("a"), 3);
        CHECKS.due("installed()", world.x.installed(), 3);
        CHECKS.due("visits()", world.x.visits(), 1);
        CHECKS.due("what stands above the name", world.x.install(0x4100L | 'a', 1), 3);
        CHECKS.due("seek does not install", world.seek("da"), 4);
        CHECKS.due("installed()", world.x.installed(), 4);
    }

    private static void noContent() {
        World world = world();
        CHECKS.due("install of no content", world.install("none"), 3);
        keep(world, 0);
        CHECKS.refused("one byte", UnsupportedOperationException.class, world.x, () -> world.install("none"));
        keep(world);
        CHECKS.due("install of an empty content", world.install("none"), 3);
        CHECKS.due("installed()", world.x.installed(), 2);
    }

    private static void refusals() {
        World world = world();
        keep(world, 1, 2, 3);
        CHECKS.due("seek da", world.seek("da"), 4);
        Class<UnsupportedOperationException> other = UnsupportedOperationException.class;
        CHECKS.refused("another length", other, world.x, () -> world.install("b"));
        CHECKS.refused("another digest", other, world.x, () -> world.install("c"));
        CHECKS.refused("not found", NoSuchElementException.class, world.x, () -> world.install("x"));
        CHECKS.refused("not found among delegates", NoSuchElementException.class, world.x, () -> world.install("db"));
        keep(world, 1, 2, 4);
        CHECKS.refused("other content", other, world.x, () -> world.install("a"));
        CHECKS.refused("other content of a delegate", other, world.x, () -> world.install("da"));
        keep(world, 7);
        CHECKS.refused("the first one found counts", other, world.x, () -> world.install("a"));
        CHECKS.due("visits() of seek", world.x.visits(), 2);
        CHECKS.due("installed()", world.x.installed(), 0);
        for (int n : new int[] {0, -1, 5}) {
            CHECKS.refused("n " + n, IllegalArgumentException.class, world.x, () -> world.x.install(0x6161616161L, n));
        }
        CHECKS.refused("no small letter", IllegalArgumentException.class, world.x, () -> world.x.install(0x4161L, 2));
    }

    private static void order() {
        TrustedUpdates x = new TrustedUpdates();
        CHECKS.refused("no name, nothing trusted", IllegalArgumentException.class, x, () -> x.install('A', 1));
        CHECKS.refused("nothing trusted", IllegalStateException.class, x, () -> x.install('a', 1));
        World world = world();
        keep(world, 9, 9);
        CHECKS.refused("not found, other content", NoSuchElementException.class, world.x, () -> world.install("x"));
        world.offerSnapshot(2, END, World.snapshot(2, 3, 2, 4, 1, 5, 1));
        CHECKS.refused("not fresh, not found", IllegalStateException.class, world.x, () -> world.install("x"));
        CHECKS.refused("not fresh", IllegalStateException.class, world.x, () -> world.install("a"));
        world.x.tick(END);
        CHECKS.refused("ended", IllegalStateException.class, world.x, () -> world.install("a"));
        CHECKS.refused("ended, no name", IllegalArgumentException.class, world.x, () -> world.x.install(0, 1));
    }

    private InstallTest() {
    }
}
