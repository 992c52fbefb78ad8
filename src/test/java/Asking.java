import java.util.ArrayList;
import java.util.List;

/** All that can be found out about a shop, whatever there is in it. */
final class Asking {
    private static final int CLOTHS = 4;
    private static final int PEOPLE = 6;
    private static final int STYLES = 3;
    private static final int PIECES = 5;
    private static final int HANDS = 3;
    private static final int ORDERS = 8;

    /** Every asking call by every number that may be there. */
    static final List<String> ALL = all();
    /** Changing calls by which it would show what no asking call tells. */
    static final List<String> GOING_ON = goingOn();

    private Asking() {
    }

    private static List<String> all() {
        List<String> asked = new ArrayList<>(List.of("clock()", "digest()"));
        add(asked, "many(%d)", 14);
        add(asked, "ofCloth(%d, %d)", CLOTHS, 6);
        add(asked, "size(%d, %d, %d, true)", STYLES, PIECES, PEOPLE);
        add(asked, "size(%d, %d, %d, false)", STYLES, PIECES, PEOPLE);
        add(asked, "ofOrder(%d, %d)", ORDERS, 8);
        for (String what : List.of("tight(%d, true)", "tight(%d, false)", "ready(%d)", "best(%d)",
                "soonest(%d)")) {
            add(asked, what, ORDERS);
        }
        add(asked, "free(%d)", HANDS);
        add(asked, "lay(%d, -1, %d, %d)", ORDERS, CLOTHS, 4);
        add(asked, "lay(%d, %d, %d, 0)", ORDERS, ORDERS, CLOTHS);
        add(asked, "lay(%d, %d, %d, 1)", ORDERS, ORDERS, CLOTHS);
        add(asked, "lay(%d, %d, %d, 2)", ORDERS, ORDERS, CLOTHS);
        add(asked, "lay(%d, %d, %d, 3)", ORDERS, ORDERS, CLOTHS);
        add(asked, "mate(%d, %d)", ORDERS, CLOTHS);
        return asked;
    }

    private static List<String> goingOn() {
        List<String> calls = new ArrayList<>(List.of("shut(false)", "bell()"));
        add(calls, "fit(%d)", ORDERS);
        add(calls, "piece(%d, 1, 1, 0, 1)", STYLES);
        add(calls, "order(0, %d, 9)", STYLES);
        calls.addAll(List.of("cloth(100, 3000, 0, 0, false, 1)", "person(50, 60, 70, 80)",
                "style()", "hand(8)", "measure(0, 1, 78)"));
        add(calls, "cut(%d, -1, %d)", ORDERS, CLOTHS);
        add(calls, "sew(%d, %d)", ORDERS, HANDS);
        calls.add("pass(100)");
        add(calls, "fit(%d)", ORDERS);
        add(calls, "give(%d)", ORDERS);
        add(calls, "wash(%d)", CLOTHS);
        calls.addAll(List.of("many(11)", "digest()"));
        return calls;
    }

    /** The call by all numbers from 0 on, below these. */
    private static void add(List<String> calls, String call, int... below) {
        int[] at = new int[below.length];
        boolean goesOn = true;
        while (goesOn) {
            Object[] numbers = new Object[at.length];
            for (int i = 0; i < at.length; i++) {
                numbers[i] = at[i];
            }
            calls.add(String.format(call, numbers));
            int place = at.length - 1;
            while (place >= 0 && ++at[place] == below[place]) {
                at[place--] = 0;
            }
            goesOn = place >= 0;
        }
    }
}
