import java.util.function.ToLongFunction;

/** One call of the face, which can be made on any object; a boolean answer counts 1 or 0. */
record Call(String text, ToLongFunction<TrustedUpdates> body) {
    static Call put(long w, int n) {
        return new Call("put(" + w + ", " + n + ")", x -> x.put(w, n) ? 1 : 0);
    }

    static Call cut(int n) {
        return new Call("cut(" + n + ")", x -> x.cut(n) ? 1 : 0);
    }

    static Call alter(int i, int v) {
        return new Call("alter(" + i + ", " + v + ")", x -> x.alter(i, v) ? 1 : 0);
    }

    static Call length() {
        return new Call("length()", TrustedUpdates::length);
    }

    static Call at(int i) {
        return new Call("at(" + i + ")", x -> x.at(i));
    }

    static Call mix(int s) {
        return new Call("mix(" + s + ")", x -> x.mix(s));
    }

    static Call digest() {
        return new Call("digest()", x -> x.digest() ? 1 : 0);
    }

    static Call sign(int key) {
        return new Call("sign(" + key + ")", x -> x.sign(key));
    }

    static Call content() {
        return new Call("content()", TrustedUpdates::content);
    }

    static Call tick(int n) {
        return new Call("tick(" + n + ")", x -> x.tick(n));
    }

    /** It answers nothing, which counts 0 here. */
    static Call begin() {
        return new Call("begin()", x -> {
            x.begin();
            return 0;
        });
    }

    static Call offer() {
        return new Call("offer()", TrustedUpdates::offer);
    }

    static Call trusted(int role, boolean ends) {
        return new Call("trusted(" + role + ", " + ends + ")", x -> x.trusted(role, ends));
    }

    static Call seek(long w, int n) {
        return new Call("seek(" + w + ", " + n + ")", x -> x.seek(w, n));
    }

    static Call seek(String name) {
        return seek(Doc.name(name), name.length());
    }

    static Call visits() {
        return new Call("visits()", TrustedUpdates::visits);
    }

    static Call install(long w, int n) {
        return new Call("install(" + w + ", " + n + ")", x -> x.install(w, n));
    }

    static Call install(String name) {
        return install(Doc.name(name), name.length());
    }

    static Call installed() {
        return new Call("installed()", TrustedUpdates::installed);
    }

    /** The answer as a text, or the exception's name behind "throws.". */
    String on(TrustedUpdates x) {
        try {
            return Long.toString(body.applyAsLong(x));
        } catch (RuntimeException e) {
            return thrown(e.getClass());
        }
    }

    static String thrown(Class<? extends RuntimeException> exception) {
        return "throws." + exception.getSimpleName();
    }
}
