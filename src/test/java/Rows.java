/** A test in rows: calls that are made on a new object, then one call and the answer that is due to it. */
abstract class Rows {
    static final String IAE = "throws.IllegalArgumentException";
    static final String ISE = "throws.IllegalStateException";
    static final String NSE = "throws.NoSuchElementException";
    static final String IOB = "throws.IndexOutOfBoundsException";
    static final String UOE = "throws.UnsupportedOperationException";
    static final String AE = "throws.ArithmeticException";

    /** Numbers that no lane, door, appointment or index has in any yard. */
    static final int[] FAR = {Integer.MIN_VALUE, -1, 40, Integer.MAX_VALUE};

    final Check check = new Check();
    private String sentence = "";

    /** The sentence of the document that the next rows are about, behind the number of its promise. */
    final void about(String text) {
        sentence = text;
    }

    /** Tests the answer to the call; if it is due to be refused, also that it changed nothing. */
    final void row(String before, String call, Object due) {
        String what = sentence + " [" + before + "] " + call;
        DockyardSlots x = Script.yardAfter(before);
        check.due(what, due, () -> Script.answer(x, call));
        if (String.valueOf(due).startsWith("throws.")) {
            changesNothing(what, before, call);
        }
    }

    /** Tests that all later calls answer as if the call had not been made. */
    final void changesNothing(String what, String before, String call) {
        changesNothing(what, before, call, Later.asks(Script.yardAfter(before)),
            Later.changes(Script.yardAfter(before)));
    }

    /** Tests the same, where the later answers without the call are known. */
    final void changesNothing(String what, String before, String call, String asks, String changes) {
        DockyardSlots asked = Script.yardAfter(before);
        Script.answer(asked, call);
        same(what + ", then asks", asks, Later.asks(asked));
        DockyardSlots changed = Script.yardAfter(before);
        Script.answer(changed, call);
        same(what + ", then changes", changes, Later.changes(changed));
    }

    /** Compares line by line, so that only the first wrong answer is printed. */
    final void same(String what, String due, String got) {
        String[] dueLines = due.split("\n");
        String[] gotLines = got.split("\n");
        int i = 0;
        while (i < dueLines.length - 1 && i < gotLines.length - 1 && dueLines[i].equals(gotLines[i])) {
            i++;
        }
        String line = gotLines[i];
        check.due(what, dueLines[i], () -> line);
    }

    /** Tests the same answer to both ways of finding the fewest moves. */
    final void fewest(String before, int trailer, Object due) {
        row(before, "fewestMoves " + trailer, due);
        row(before, "fewestByOrders " + trailer, due);
    }

    /** Tests the same answer to both ways of finding the charge. */
    final void charge(String before, int trailer, Object due) {
        row(before, "charge " + trailer, due);
        row(before, "chargeByHours " + trailer, due);
    }
}
