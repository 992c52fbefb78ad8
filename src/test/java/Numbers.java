import java.util.ArrayList;
import java.util.List;

/** Calls by the numbers at the edges of what they may be; a call has %d for each of its numbers. */
final class Numbers {
    private Numbers() {
    }

    /** Each number in turn the least and the most that is taken, the others as they are here. */
    static String[] edges(String call, int[] others, int[][] ranges) {
        List<String> calls = new ArrayList<>();
        for (int i = 0; i < ranges.length; i++) {
            for (int number : ranges[i]) {
                calls.add(with(call, others, i, number));
            }
        }
        return calls.toArray(new String[0]);
    }

    /** Each number in turn just below the least, just above the most, and far away. */
    static String[] beyond(String call, int[] others, int[][] ranges) {
        List<String> calls = new ArrayList<>();
        for (int i = 0; i < ranges.length; i++) {
            for (int number : new int[] {ranges[i][0] - 1, ranges[i][1] + 1, Integer.MIN_VALUE,
                Integer.MAX_VALUE}) {
                calls.add(with(call, others, i, number));
            }
        }
        return calls.toArray(new String[0]);
    }

    private static String with(String call, int[] others, int place, int number) {
        Object[] numbers = new Object[others.length];
        for (int i = 0; i < numbers.length; i++) {
            numbers[i] = i == place ? number : others[i];
        }
        return String.format(call, numbers);
    }
}
