/** Tests of single sentences: each quotes the words that it proves and tells the head under which they stand. */
final class Bounds {
    private static final Doc DOC = Doc.read();

    private Bounds() {
    }

    static void terms(String words, Runnable calls) {
        test("Terms", words, calls);
    }

    static void promise(int n, String words, Runnable calls) {
        test("Promise " + n, words, calls);
    }

    private static void test(String head, String words, Runnable calls) {
        Check.about(head + ", \"" + words + "\": ");
        if (DOC.isThere()) {
            Check.same("that they stand in the document", DOC.quote(head, words), true);
        }
        int before = Check.compared();
        try {
            calls.run();
        } catch (RuntimeException e) {
            Check.same("throws " + e, true, false);
        }
        Check.same("that there is a call", Check.compared() > before, true);
        Check.about("");
    }

    /** Every word under 'Terms' and under the promises is quoted by some test. */
    static void close() {
        if (!DOC.isThere()) {
            System.out.println("the document is not there: what is quoted was not looked up");
        }
        for (String head : DOC.heads()) {
            for (String words : DOC.unquoted(head)) {
                Check.same(head + ", not quoted by any test: " + words, true, false);
            }
        }
        Check.close();
    }
}
