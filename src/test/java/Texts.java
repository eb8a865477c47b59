/** TEXTS another way: faults by a machine with a stack, worth by splitting at the weakest sign. */
final class Texts {
  private Texts() {
  }

  /** -1: none. The stack holds what is open: '!' , '(' or 'C', a ( behind a comparison of its outside. */
  static int fault(String text, String names) {
    StringBuilder open = new StringBuilder();
    boolean compared = false;
    boolean wanted = true;
    int digits = 0;
    for (int i = 0; i < text.length(); i++) {
      char b = text.charAt(i);
      boolean digit = b >= '0' && b <= '9';
      if (digit && digits > 0 && digits < 4) {
        digits++;
        continue;
      }
      digits = 0;
      if (wanted) {
        if (digit || names.indexOf(b) >= 0) {
          digits = digit ? 1 : 0;
          wanted = false;
          closeNots(open);
        } else if ((b == '!' || b == '(') && open.length() < 5) {
          open.append(b == '!' ? '!' : compared ? 'C' : '(');
          compared = b == '!' && compared;
        } else {
          return i;
        }
      } else if (b == ')') {
        if (open.length() == 0) {
          return i;
        }
        compared = open.charAt(open.length() - 1) == 'C';
        open.setLength(open.length() - 1);
        closeNots(open);
      } else if ("+-*/%".indexOf(b) >= 0) {
        wanted = true;
      } else if ("<=>".indexOf(b) >= 0 && !compared) {
        wanted = true;
        compared = true;
      } else if (b == '|' || b == '&') {
        wanted = true;
        compared = false;
      } else {
        return i;
      }
    }
    return wanted || open.length() > 0 ? text.length() : -1;
  }

  private static void closeNots(StringBuilder open) {
    while (open.length() > 0 && open.charAt(open.length() - 1) == '!') {
      open.setLength(open.length() - 1);
    }
  }

  static int worth(String text, String names, int a, int b, int c) {
    String[] levels = {"|", "&", "<=>", "+-", "*/%"};
    for (String signs : levels) {
      int at = lastOutside(text, signs);
      if (at > 0) {
        int left = worth(text.substring(0, at), names, a, b, c);
        int right = worth(text.substring(at + 1), names, a, b, c);
        return joined(text.charAt(at), left, right);
      }
    }
    if (text.charAt(0) == '!') {
      return worth(text.substring(1), names, a, b, c) == 0 ? 1 : 0;
    }
    if (text.charAt(0) == '(') {
      return worth(text.substring(1, text.length() - 1), names, a, b, c);
    }
    int name = names.indexOf(text);
    return name == 0 ? a : name == 1 ? b : name == 2 ? c : Integer.parseInt(text);
  }

  private static int lastOutside(String text, String signs) {
    int depth = 0;
    for (int i = text.length() - 1; i >= 0; i--) {
      char sign = text.charAt(i);
      depth += sign == ')' ? 1 : sign == '(' ? -1 : 0;
      if (depth == 0 && signs.indexOf(sign) >= 0) {
        return i;
      }
    }
    return -1;
  }

  private static int joined(char sign, int left, int right) {
    boolean truth;
    switch (sign) {
      case '+':
        return left + right;
      case '-':
        return left - right;
      case '*':
        return left * right;
      case '/':
        return right == 0 ? 0 : (int) ((long) left / right);
      case '%':
        return right == 0 ? 0 : (int) ((long) left % right);
      case '|':
        truth = left != 0 || right != 0;
        break;
      case '&':
        truth = left != 0 && right != 0;
        break;
      case '<':
        truth = left < right;
        break;
      case '>':
        truth = left > right;
        break;
      default:
        truth = left == right;
    }
    return truth ? 1 : 0;
  }
}
