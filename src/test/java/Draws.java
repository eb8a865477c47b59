/** Draws that are the same in every run. */
final class Draws {
  private long state;

  Draws(long seed) {
    state = seed * 0x9E3779B97F4A7C15L + 1;
  }

  int bits() {
    state = state * 6364136223846793005L + 1442695040888963407L;
    return (int) (state >>> 32);
  }

  int below(int n) {
    return (int) ((bits() & 0xFFFFFFFFL) % n);
  }

  /** Mostly low to high, now and then just outside. */
  int near(int low, int high) {
    int odd = below(40);
    return odd == 0 ? low - 1 : odd == 1 ? high + 1 : low + below(high - low + 1);
  }

  int wild() {
    int[] special = {0, 1, -1, Integer.MAX_VALUE, Integer.MIN_VALUE, Integer.MAX_VALUE - 1, Integer.MIN_VALUE + 1};
    int kind = below(4);
    return kind == 0 ? special[below(special.length)] : kind == 1 ? bits() : kind == 2 ? below(100) - 20 : below(10);
  }

  String text(String names, int depth) {
    StringBuilder s = new StringBuilder();
    int parts = 1 + below(3);
    for (int i = 0; i < parts; i++) {
      if (i > 0) {
        s.append("|&<=>+-*/%+-*/".charAt(below(14)));
      }
      int kind = below(9);
      if (kind == 0) {
        s.append('!');
      }
      if (kind < 3 && depth > 0) {
        s.append('(').append(text(names, depth - 1)).append(')');
      } else if (kind < 6) {
        s.append(names.charAt(below(names.length())));
      } else {
        s.append(below(kind == 7 ? 10000 : 12));
      }
    }
    if (below(12) == 0) {
      s.setCharAt(below(s.length()), "0123456789csllfg|&<=>+-*/%!() ".charAt(below(30)));
    }
    return s.toString();
  }
}
