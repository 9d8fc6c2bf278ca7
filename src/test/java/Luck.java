/** Numbers that are the same in every run. */
final class Luck {
    private long state;

    Luck(long seed) {
        state = seed * 0x9E3779B97F4A7C15L + 0x1234567L;
    }

    /** 0 .. below - 1. */
    int below(int below) {
        state = state * 6364136223846793005L + 1442695040888963407L;
        return (int) ((state >>> 33) % below);
    }

    int between(int low, int high) {
        return low + below(high - low + 1);
    }

    boolean oneIn(int n) {
        return below(n) == 0;
    }

    String of(String... choices) {
        return choices[below(choices.length)];
    }
}
