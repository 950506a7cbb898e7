/** Texts with the fault that is due, and what a line's tests come to. */
public final class TextTest {
    public static void main(String[] args) {
        right();
        faults();
        values();
        manyLines();
        depths();
        Check.end();
    }

    private static void fault(String text, int kind, int place) {
        Check.due("[" + text + "]", Check.read(new GiftShops(), text), kind + 16 * place);
    }

    private static void right() {
        String[] texts = {"", " \n ", "rag when 1;", "rag when1;", "\nrag\nwhen\n1\n;\n", "rag when 1and 2;",
            "rag when 1and2and(3);", "rag when kind+state-season+now-base+giver<9999;",
            "rag when (1<2)=(3=4)and(5);", "shelf when 0000;store when 9999;look when(kind);", "rag when 1-2-3+4;"};
        for (String text : texts) {
            Check.due("[" + text + "]", Check.read(new GiftShops(), text), 0);
        }
    }

    private static void faults() {
        fault("rag", 1, 3);
        fault("rag  ", 1, 5);
        fault("nag when 1;", 1, 0);
        fault("ra when 1;", 1, 0);
        fault("rags when 1;", 1, 0);
        fault("rag when", 1, 8);
        fault("ragwhen 1;", 1, 0);
        fault("when 1;", 1, 0);
        fault("rag when ;", 1, 9);
        fault("rag when 1", 1, 10);
        fault("rag when 1 2;", 1, 11);
        fault("rag when 1;;", 1, 11);
        fault("rag when 1; 2", 1, 12);
        fault("rag when 12345;", 1, 9);
        fault("rag when 1234;x", 1, 14);
        fault("rag when 1 and", 1, 14);
        fault("rag when 1 and and 2;", 1, 15);
        fault("rag when abcdefghi;", 1, 9);
        fault("rag when 1 abcdefghi;", 1, 11);
        fault("rag when seasons;", 1, 9);
        fault("rag when Kind;", 1, 9);
        fault("rag when ki nd;", 1, 9);
        fault("rag when kind1;", 1, 13);
        fault("rag when 1 * 2;", 1, 11);
        fault("rag when 1 < 2 = 3;", 1, 15);
        fault("rag when 1 = 2 < 3;", 1, 15);
        fault("rag when 1 <;", 1, 12);
        fault("rag when 1 + ;", 1, 13);
        fault("rag when -1;", 1, 9);
        fault("rag when 1--1;", 1, 11);
        fault("rag when ();", 1, 10);
        fault("rag when (1;", 1, 11);
        fault("rag when 1);", 1, 10);
        fault("rag when (1 2);", 1, 12);
        fault("rag when rag;", 1, 9);
        fault("rag when when;", 1, 9);
        fault("rag when 1 < = 2;", 1, 13);
        fault("rag when 1 @ 12345", 1, 11);
        fault("rag rag when 1;", 1, 4);
        fault("look when 1 when 2;", 1, 12);
    }

    private static void manyLines() {
        StringBuilder sixteen = new StringBuilder();
        for (int i = 0; i < 16; i++) {
            sixteen.append("rag when 1;");
        }
        String text = sixteen.toString();
        Check.due("16 lines", Check.read(new GiftShops(), text), 0);
        fault(text + "look", 5, 176);
        fault(text + "  shelf when", 5, 178);
        fault(text + "sell", 1, 176);
        fault(text + "when", 1, 176);
        fault(text + "?", 1, 176);
        fault(text + ";", 1, 176);
        fault(text + "abcdefghi", 1, 176);
    }

    private static void depths() {
        Check.due("four brackets", Check.read(new GiftShops(), "rag when ((((1))));"), 0);
        Check.due("side by side", Check.read(new GiftShops(), "rag when ((((1)+(2))))-((((3))));"), 0);
        fault("rag when (((((1)))));", 5, 14);
        fault("rag when ((((((1))))));", 5, 14);
        fault("rag when (((((kind)))));", 5, 14);
        fault("rag when ((((()))));", 1, 14);
        fault("rag when (((((and)))));", 1, 14);
        fault("rag when (((((+1)))));", 1, 14);
        fault("rag when (((((12345)))));", 1, 14);
        fault("rag when ((((1+(2)))));", 5, 16);
        fault("rag when (((((", 1, 14);
    }

    private static void values() {
        value("1", 1);
        value("0", 3);
        value("1-1", 3);
        value("1-2", 1);
        value("1-2+1", 3);
        value("5-2-3", 3);
        value("5-(2-3)-6", 3);
        value("5-(2-3)", 1);
        value("2 and 4 = 1", 3);
        value("(2 and 4) = 1", 1);
        value("(2 and 0) = 0", 1);
        value("(0 and 0) = 0", 1);
        value("1-2 < 0", 1);
        value("2 < 2", 3);
        value("(2 < 3) = 1", 1);
        value("(2 = 2) = 1", 1);
        value("(2 = 3) = 0", 1);
        value("(3 < 2) = 0", 1);
        value("(3 < 3) = 0", 1);
        value("1 + 1 = 2 and 3 < 4", 1);
        value("kind = 6 and state = 7 and season = 2 and now = 0", 1);
        value("base = 321 and giver = 13", 1);
        value("9999+9999 = base + 9999 + 9678", 1);
        value("0007 = state", 1);
        // all that can wait for its right side at once, in each of the five levels
        value("1 and 1 < 1 + (1 and 1 < 1 + (1 and 1 < 1 + (1 and 1 < 1 + (1 and 1 < 1 + 1))))", 1);
        value("1 and 2 < 1 + (1 and 1 < 1 + (1 and 1 < 1 + (1 and 1 < 1 + (1 and 1 < 1 + 1))))", 3);
        value("1 and 1 < 1 + (1 and 1 < 1 + (1 and 1 < 1 + (1 and 1 < 1 + (1 and 1 < 1 + 0))))", 3);
    }

    /** The way of a thing of giver 13, kind 6, state 7 and season 2 by one line that tells shelf. */
    private static void value(String tests, int way) {
        GiftShops x = Check.with("shelf when " + tests + ";");
        x.base(6, 321);
        x.give(13, 6, 7, 2);
        Check.due("[" + tests + "]", Check.look(x, 0, 4), way);
    }
}
