/** What the tests of edges share: the offices on which they try calls, and numbers far away from any edge. */
abstract class Edges {
    static final int LEAST = Integer.MIN_VALUE;
    static final int MOST = Integer.MAX_VALUE;

    final Due due = new Due();
    final Tried empty = new Tried(due, Offices::empty);
    final Tried some = new Tried(due, Offices::some);
    final Tried full = new Tried(due, Offices::full);
    final Tried all = new Tried(due, Offices::empty, Offices::some, Offices::full);

    /** Offices with the bytes 1, 2, 3 and so on. */
    final Tried bytes(int many) {
        return new Tried(due, () -> Offices.ofBytes(many));
    }

    /** The document's model with the bytes of an office, so many, and nothing else of it. */
    static Model modelOfBytes(CheckmarkOffice office, int many) {
        Model model = new Model();
        for (int place = 0; place < many; place++) {
            model.type(office.byteAt(place) << 24, 1);
        }
        return model;
    }
}
