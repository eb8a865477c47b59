/** Promises 15 to 17: texts. */
public final class TextsTest {
  private TextsTest() {
  }

  public static void main(String[] args) {
    feed();
    textTaken();
    faults();
    faultsOfNames();
    faultsOfBytes();
    tapeAgain();
    open();
    lawRings();
    lawTruth();
    lawDeep();
    lawLets();
    lawWithout();
    Due.end();
  }

  private static void feed() {
    DrownedBell x = new DrownedBell();
    Due.is("15: beyond 0", x.feed(0, 0), Due.BEYOND);
    Due.is("15: beyond 9", x.feed(0, 9), Due.BEYOND);
    Due.is("15: beyond less", x.feed(0, -1), Due.BEYOND);
    Due.is("15: one", x.feed(-1L, 1), 1);
    Due.is("15: eight", x.feed(-1L, 8), 9);
    for (int i = 1; i <= 5; i++) {
      Due.is("15: more", x.feed(0, 8), 9 + 8 * i);
    }
    Due.is("15: full by one", x.feed(0, 2), Due.FULL);
    Due.is("15: as many as before", x.count(4), 49);
    Due.is("15: beyond ahead of full", x.feed(0, 9), Due.BEYOND);
    Due.is("15: fifty", x.feed(0, 1), 50);
    Due.is("15: full", x.feed(0, 1), Due.FULL);
    Due.is("15: told", x.told(4), 2);
    Due.is("15: first byte is 255", x.text(0), -10);
    x.feed(0x3233343536373839L, 1);
    x.feed(0x31L << 8 | 0x2B, 2);
    Due.is("15: lowest first", x.text(0), 1);
    Due.is("15: 9 and 1", x.law(0, 0, 0, 0), 10);
  }

  private static void textTaken() {
    DrownedBell x = new DrownedBell();
    Due.feed(x, "7");
    Due.is("16: beyond above", x.text(2), Due.BEYOND);
    Due.is("16: beyond below", x.text(-1), Due.BEYOND);
    Due.is("16: the tape stays", x.count(4), 1);
    Due.is("16: taken", x.text(0), 1);
    Due.is("16: the tape is empty", x.count(4), 0);
    Due.is("16: gives", x.law(0, 0, 0, 0), 7);
    Due.is("16: nothing on the tape", x.text(0), -10);
    Due.is("16: the one ahead stays", x.law(0, 0, 0, 0), 7);
    Due.is("16: a fault", Due.text(x, 0, "8+"), -12);
    Due.is("16: the tape is empty, too", x.count(4), 0);
    Due.is("16: the one ahead stays again", x.law(0, 0, 0, 0), 7);
    Due.is("16: in place", Due.text(x, 0, "8"), 1);
    Due.is("16: gives the new", x.law(0, 0, 0, 0), 8);
    Due.is("16: the other use", Due.text(x, 1, "3"), 1);
    Due.is("16: of its own", x.law(0, 0, 0, 0), 8);
    Due.is("16: lets", x.law(1, 9, 0, 0), 3);
    Due.is("16: no error told", x.told(1), 2);
    Due.text(x, 0, "1+2+3+4");
    Due.text(x, 0, "5");
    Due.is("16: nothing stays of the longer one", x.law(0, 0, 0, 0), 5);
    Due.text(x, 0, "1+!!!!!4");
    Due.text(x, 0, "5+1");
    Due.is("16: no sign stays of the longer one", x.law(0, 0, 0, 0), 6);
    Due.is("16: fifty bytes", Due.text(x, 0, "1+1+1+1+1+1+1+1+1+1+1+1+1+1+1+1+1+1+1+1+1+1+1+1+10"), 1);
    Due.is("16: fifty signs and numbers", Due.text(x, 0, "!0*c-1-1-1-1-1-1-1-1-1-1-1-1-1-1-1-1-1-1-1-1-1-1-1"), 1);
    Due.is("17: all of them count", x.law(0, 33, 0, 0), 10);
    Due.is("16: too early at 50", Due.text(x, 0, "1+1+1+1+1+1+1+1+1+1+1+1+1+1+1+1+1+1+1+1+1+1+1+1+1+"), -60);
  }

  private static void fault(String text, int want) {
    DrownedBell x = new DrownedBell();
    Due.is("16: " + text, Due.text(x, 0, text), want < 0 ? 1 : -10 - want);
  }

  private static void faults() {
    String[] good = {"0", "0000", "9999", "c", "s", "l", "1|2|3", "1&2&3", "1<2", "1=2", "1>2", "1<2&3>4|5=6",
        "1+2-3", "1*2/3%4", "!1", "!!!!!1", "(((((1)))))", "!(!(!1))", "(1<2)<3", "1<(2<3)", "((1))*(2)",
        "1+!2*!(3)", "!1+!1+!1+!1+!1+!1+!1", "(1)+(1)+(1)+(1)+(1)+(1)+(1)"};
    for (String text : good) {
      fault(text, -1);
    }
    fault("", 0);
    fault("+", 0);
    fault("-1", 0);
    fault(")", 0);
    fault(" 1", 0);
    fault("1 ", 1);
    fault("12345", 4);
    fault("00000", 4);
    fault("1+12345", 6);
    fault("1c", 1);
    fault("c1", 1);
    fault("cc", 1);
    fault("1(", 1);
    fault("1!", 1);
    fault("1<2<3", 3);
    fault("1<2=3", 3);
    fault("1=2>3", 3);
    fault("1<2&3<4<5", 7);
    fault("(1<2>3)", 4);
    fault("1||2", 2);
    fault("1&", 2);
    fault("1+*2", 2);
    fault("(1", 2);
    fault("(1+2", 4);
    fault("()", 1);
    fault("1)", 1);
    fault("(1))", 3);
    fault("!", 1);
    fault("!)", 1);
    fault("1/", 2);
    fault("1%%1", 2);
    fault("1\u00e9", 1);
    fault("1\0", 1);
    fault("C", 0);
    fault("1<=2", 2);
  }

  private static void faultsOfNames() {
    DrownedBell x = new DrownedBell();
    String letters = "abcdefghijklmnopqrstuvwxyz";
    for (int i = 0; i < letters.length(); i++) {
      String name = letters.substring(i, i + 1);
      Due.is("16: rings " + name, Due.text(x, 0, "1+" + name), "csl".contains(name) ? 1 : -12);
      Due.is("16: lets " + name, Due.text(x, 1, "1+" + name), "lfg".contains(name) ? 1 : -12);
    }
  }

  private static void byteFault(DrownedBell x, String ahead, int b, int want) {
    Due.feed(x, ahead);
    x.feed(b, 1);
    Due.is("16: " + ahead + " and byte " + b, x.text(0), want < 0 ? 1 : -10 - want);
  }

  /** Each byte where a Q begins, and behind one. */
  private static void faultsOfBytes() {
    DrownedBell first = new DrownedBell();
    DrownedBell second = new DrownedBell();
    for (int b = 0; b < 256; b++) {
      boolean digit = b >= '0' && b <= '9';
      boolean name = b == 'c' || b == 's' || b == 'l';
      boolean opens = b == '!' || b == '(';
      byteFault(first, "", b, digit || name ? -1 : opens ? 1 : 0);
      if (b % 2 == 0) {
        byteFault(second, "7", b, digit ? -1 : "|&<=>+-*/%".indexOf(b) >= 0 ? 2 : 1);
      }
    }
    DrownedBell third = new DrownedBell();
    for (int b = 1; b < 256; b += 2) {
      boolean digit = b >= '0' && b <= '9';
      byteFault(third, "7", b, digit ? -1 : "|&<=>+-*/%".indexOf(b) >= 0 ? 2 : 1);
    }
  }

  private static void tapeAgain() {
    DrownedBell x = new DrownedBell();
    for (int i = 0; i < 6; i++) {
      x.feed(0x2B312B312B312B31L, 8);
    }
    x.feed(0x3232, 2);
    Due.is("15: full", x.feed('2', 1), Due.FULL);
    Due.is("16: fifty bytes", x.text(0), 1);
    Due.is("16: all of them are read", x.law(0, -30, 0, 0), 20);
    Due.is("15: from 1 again", x.feed('1', 1), 1);
    Due.is("16: none of the old", x.text(0), 1);
    Due.is("16: only the new", x.law(0, 0, 0, 0), 1);
    for (int i = 0; i < 6; i++) {
      x.feed(0x2828282828282828L, 8);
    }
    Due.is("16: the sixth that opens", x.text(1), -15);
    Due.is("15: empty behind a fault", x.feed(0x67, 1), 1);
    Due.is("16: read from the first byte", x.text(1), 1);
    Due.is("16: g", x.law(1, 99, 0, 12), 12);
  }

  private static void open() {
    fault("!!!!!!1", 5);
    fault("((((((1))))))", 5);
    fault("!(!(!(1)))", 5);
    fault("!(!(!", 5);
    fault("!(!(!!1))", 5);
    fault("(!1+!1+((((1", 12);
    fault("(!1+!1+(((((1", 11);
    fault("(!1+!1+((((1))))", 16);
    fault("(!1+!1+((((!", 11);
    fault("((((!1&!!1))))", 8);
    fault("((((!1&!1))))", -1);
    String[] signs = {"|", "&", "<", "=", ">", "+", "-", "*", "/", "%"};
    for (String sign : signs) {
      fault("(((((1" + sign + "(1)))))", 7);
      fault("(((((1" + sign + "!1)))))", 7);
      fault("((((1" + sign + "(1)))))", -1);
      fault("((((1" + sign + "!1))))", -1);
      boolean once = "<=>".contains(sign);
      fault("1" + sign + "1" + sign + "1" + sign + "1" + sign + "1" + sign + "1" + sign + "(((((1)))))", once ? 3 : -1);
    }
  }

  private static void rings(String text, int want) {
    DrownedBell x = new DrownedBell();
    Due.is("16: " + text, Due.text(x, 0, text), 1);
    Due.is("17: " + text, x.law(0, 7, 13, -5), want);
  }

  private static void lawRings() {
    rings("c", 7);
    rings("s", 13);
    rings("l+9", 4);
    rings("l", 0);
    rings("s+c+1", 20);
    rings("s+8", 20);
    rings("2+3*4", 14);
    rings("(2+3)*4", 20);
    rings("20-3-4", 13);
    rings("100/5/2", 10);
    rings("100%7*5", 10);
    rings("17%6", 5);
    rings("l/2+9", 7);
    rings("l%3+9", 7);
    rings("1+7/0", 1);
    rings("1+7%0", 1);
    rings("!0", 1);
    rings("!7", 0);
    rings("!!7", 1);
    rings("!c+5", 5);
    rings("!(c-7)+5", 6);
    rings("2&4", 1);
    rings("2&0", 0);
    rings("0&2", 0);
    rings("0&0", 0);
    rings("2|0", 1);
    rings("0|4", 1);
    rings("0|0", 0);
    rings("1|0&0", 1);
    rings("1|1&0+2", 1);
    rings("3<4", 1);
    rings("4<4", 0);
    rings("4=4", 1);
    rings("4=3", 0);
    rings("5>4", 1);
    rings("4>4", 0);
    rings("5<4", 0);
    rings("3>4", 0);
    rings("3=4", 0);
    rings("l<1", 1);
    rings("1<l", 0);
    rings("l>1", 0);
    rings("1>l", 1);
    rings("l=0-5", 1);
    rings("9999<9999+1", 1);
    rings("0=0000", 1);
    rings("19+1", 20);
    rings("19+2", 20);
    rings("0-1", 0);
    rings("l|0", 1);
    rings("l&l", 1);
    rings("!l", 0);
    rings("0/5", 0);
    rings("0%5", 0);
    rings("0/0", 0);
    rings("0%0", 0);
    rings("l/0+3", 3);
    rings("l%0+3", 3);
    rings("l/3+9", 8);
    rings("7/(0-2)+9", 6);
    rings("7%(0-2)+9", 10);
    rings("c/c*c%5", 2);
    rings("l<0", 1);
    rings("1+1<2+1", 1);
    rings("(3>2)+(2>1)+5", 7);
    rings("9999*9999*9999*9999>0", 1);
    rings("9999*9999*9999<0", 1);
    rings("9999*9999*9999%17+17", 15);
    rings("0012", 12);
  }

  /** What is true is 1, what isn't is 0, and no other number. */
  private static void lawTruth() {
    String[] yes = {"3<4", "4=4", "5>4", "l<s", "2&4", "l&l", "2|0", "0|l", "!0", "!!l", "(1<2)=1", "!(4<4)"};
    String[] no = {"4<4", "5<4", "4=5", "4>4", "3>4", "s<l", "2&0", "0&2", "0&0", "0|0", "!7", "!l", "!(4=4)"};
    for (String text : yes) {
      Due.is("17: true " + text, textGives(text), 8);
    }
    for (String text : no) {
      Due.is("17: not true " + text, textGives(text), 7);
    }
  }

  private static int textGives(String text) {
    DrownedBell x = new DrownedBell();
    Due.is("16: (" + text + ")+7", Due.text(x, 0, "(" + text + ")+7"), 1);
    return x.law(0, 7, 13, -5);
  }

  /** As many numbers as can wait for their signs. */
  private static void lawDeep() {
    String part = "0|1&1<1+1*(";
    String ahead = part + part + part + part;
    rings(ahead + "1))))", 1);
    rings(ahead + "0))))", 0);
    rings("(((((20)))))", 20);
    rings("!!!!!0", 1);
    rings("!(!(!0))", 1);
    rings("20-(19-(18-(17-(16-(15)))))", 3);
    rings("3*(2+(1|(4&(5<6))))", 9);
    rings("5+!0", 6);
    rings("5+!3", 5);
    rings("4*!!3+2*!0", 6);
    rings("7-(1+!(c-7))", 5);
    rings("0<1+!0", 1);
  }

  private static void lawLets() {
    DrownedBell x = new DrownedBell();
    Due.is("17: text", Due.text(x, 1, "l*100+f*10+g"), 1);
    Due.is("17: in order", x.law(1, 1000, -10000, 1), 1);
    Due.is("17: held by the level", x.law(1, 500, 1, 1), 500);
    Due.is("17: held at 0", x.law(1, 5, -100, 0), 0);
    Due.is("17: a level of 0", x.law(1, 0, 5, 5), 0);
    Due.is("17: a level below 0", x.law(1, -5, 100, 5), 0);
    Due.is("17: beyond above", x.law(2, 0, 0, 0), Due.BEYOND);
    Due.is("17: beyond below", x.law(-1, 0, 0, 0), Due.BEYOND);
    Due.is("17: told", x.told(1), 2);
    Due.text(x, 0, "c-1");
    Due.is("17: wraps", x.law(0, Integer.MIN_VALUE, 0, 0), 20);
    Due.text(x, 0, "c/(0-1)+1");
    Due.is("17: the least by -1", x.law(0, Integer.MIN_VALUE, 0, 0), 0);
    Due.text(x, 0, "c%(0-1)+1");
    Due.is("17: the rest of the least by -1", x.law(0, Integer.MIN_VALUE, 0, 0), 1);
  }

  private static void lawWithout() {
    DrownedBell x = new DrownedBell();
    Due.is("17: rings", x.law(0, 30, 39, 99), 20);
    Due.is("17: rings by silt", x.law(0, 20, 39, 99), 13);
    Due.is("17: rings by silt below 0", x.law(0, 10, -39, 99), 9);
    Due.is("17: rings held", x.law(0, 3, 0, 0), 0);
    Due.is("17: rings once", x.law(0, 5, 9, 0), 1);
    Due.is("17: rings by silt, once less", x.law(0, 5, 10, 0), 0);
    Due.is("17: rings 20", x.law(0, 24, 0, 0), 20);
    Due.is("17: rings 21", x.law(0, 25, 0, 0), 20);
    Due.is("17: rings wrap", x.law(0, Integer.MIN_VALUE, 0, 0), 20);
    Due.is("17: lets", x.law(1, 50, 9, 7), 7);
    Due.is("17: lets held", x.law(1, 6, 9, 7), 6);
    Due.is("17: lets all", x.law(1, 7, 9, 7), 7);
    Due.is("17: lets of a level of 0", x.law(1, 0, 9, 7), 0);
    Due.is("17: lets by the most", x.law(1, Integer.MAX_VALUE, 0, Integer.MAX_VALUE), Integer.MAX_VALUE);
    Due.is("17: lets of the least level", x.law(1, Integer.MIN_VALUE, 0, Integer.MAX_VALUE), 0);
    Due.is("17: lets held at 0", x.law(1, 6, 9, -7), 0);
    Due.is("17: lets of a level below 0", x.law(1, -6, 9, 7), 0);
  }
}
